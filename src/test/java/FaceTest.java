import java.io.IOException;
import java.lang.reflect.Constructor;
import java.lang.reflect.Field;
import java.lang.reflect.Method;
import java.lang.reflect.Modifier;
import java.nio.file.Files;
import java.nio.file.Path;
import java.util.ArrayList;
import java.util.List;
import java.util.Set;
import java.util.TreeSet;
import java.util.regex.Matcher;
import java.util.regex.Pattern;

/** The document's face, and those rules of LANGUAGE.md that can be told from the classes and the words of the source. */
final class FaceTest {
    private static final String FACE = """
        int allSmokeAfter(int)
        int alarm(int)
        int bestSwitch(int)
        int breakFan(int,boolean)
        int clearAfter(int)
        int commandsBy(int)
        int count(int)
        int damper(int,int)
        int errorCode()
        int errorPosition()
        int event(int,int)
        int events()
        int exhaust(int)
        int fan(int,int)
        int feed(int,int,int,int,int)
        int firstAlarm()
        int jam(int,boolean)
        int keep(int)
        int load(int)
        int mostOpenDoors()
        int operateDamper(int,int)
        int operateFan(int,int)
        int pressureAfter(int)
        int pressureWith(int)
        int purgeTime(int)
        int reset()
        int restore(int)
        int ruleHolds(int)
        int setDetector(int,boolean)
        int setDoor(int,boolean)
        int setSource(int,int)
        int smoke(int)
        int smokeAfter(int,int)
        int stair(int)
        int supply(int)
        int switchDamper(int,int)
        int switchFan(int,int)
        int tick(int)
        int time()
        int turnKey(boolean)
        int worstDoor()
        """;
    private static final String[] NO_WORDS = {"throw", "throws", "try", "catch", "finally", "synchronized", "assert",
        "hashCode", "toString", "lambda", "volatile", "native", "package", "float", "double"};
    private static final Set<String> IMPORTS = Set.of("java.util.Arrays");

    public static void main(String[] args) throws IOException {
        face();
        classes();
        words();
        Check.end();
    }

    private static void must(String what, boolean holds) {
        Check.due(what, holds ? 1 : 0, 1);
    }

    private static void face() {
        Class<?> it = SmokeControl.class;
        must("the class is public and final", Modifier.isPublic(it.getModifiers()) && Modifier.isFinal(it.getModifiers()));
        Set<String> due = new TreeSet<>(List.of(FACE.trim().split("\\s*\n\\s*")));
        Set<String> found = new TreeSet<>();
        for (Method m : it.getDeclaredMethods()) {
            if (!Modifier.isPrivate(m.getModifiers())) {
                must(m + " is public and of the object", m.getModifiers() == Modifier.PUBLIC);
                found.add(signature(m));
            }
        }
        must("the methods are " + due + ", found are " + found, due.equals(found));
        Constructor<?>[] constructors = it.getDeclaredConstructors();
        must("one constructor", constructors.length == 1 && Modifier.isPublic(constructors[0].getModifiers())
            && constructors[0].getParameterCount() == 0);
        for (Field f : it.getDeclaredFields()) {
            must(f + " is private or NONE", Modifier.isPrivate(f.getModifiers())
                || f.getName().equals("NONE") && f.getModifiers() == (Modifier.PUBLIC | Modifier.STATIC | Modifier.FINAL));
        }
    }

    private static String signature(Method m) {
        StringBuilder found = new StringBuilder(m.getReturnType() + " " + m.getName() + "(");
        for (Class<?> p : m.getParameterTypes()) {
            found.append(found.charAt(found.length() - 1) == '(' ? "" : ",").append(p);
        }
        return found.append(')').toString();
    }

    private static void classes() {
        Set<String> faceNames = new TreeSet<>();
        for (String line : FACE.trim().split("\\s*\n\\s*")) {
            faceNames.add(line.substring(4, line.indexOf('(')));
        }
        List<Class<?>> all = new ArrayList<>(List.of(SmokeControl.class.getDeclaredClasses()));
        for (Class<?> c : all) {
            must(c + " is static and not public", Modifier.isStatic(c.getModifiers()) && !Modifier.isPublic(c.getModifiers()));
        }
        all.add(SmokeControl.class);
        must("at most twelve classes", all.size() <= 12);
        for (Class<?> c : all) {
            int fields = 0;
            for (Field f : c.getDeclaredFields()) {
                boolean constant = Modifier.isStatic(f.getModifiers());
                must(f + ": static fields are final", !constant || Modifier.isFinal(f.getModifiers()));
                fields += constant ? 0 : 1;
            }
            must(c + " has at most twenty fields", fields <= 20);
            for (Method m : c.getDeclaredMethods()) {
                must(m + " has at most seven parameters", m.getParameterCount() <= 7);
                must(m + " does not bear the name of a public one",
                    Modifier.isPublic(m.getModifiers()) || !faceNames.contains(m.getName()));
            }
        }
    }

    private static void words() throws IOException {
        String source = Files.readString(Path.of("src/main/java/SmokeControl.java"));
        String bare = source.replaceAll("(?s)/\\*.*?\\*/", "").replaceAll("//[^\n]*", "")
            .replaceAll("\"[^\"\n]*\"", "\"\"").replaceAll("'.'", "' '");
        for (String word : NO_WORDS) {
            must("no " + word, !Pattern.compile("\\b" + word + "\\b").matcher(bare).find());
        }
        must("no lambda, no method reference", !bare.contains("->") && !bare.contains("::"));
        must("no function that throws", !Pattern.compile("\\w+Exact\\b").matcher(bare).find());
        must("no joining of texts by +", !bare.contains("\" +") && !bare.contains("+ \""));
        Matcher imports = Pattern.compile("\\bimport\\s+([\\w.*]+)").matcher(bare);
        while (imports.find()) {
            must("import " + imports.group(1), IMPORTS.contains(imports.group(1)));
        }
        must("signs 1 to 127", source.chars().allMatch(c -> c >= 1 && c <= 127));
    }
}
