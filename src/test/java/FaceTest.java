import java.io.IOException;
import java.lang.reflect.Constructor;
import java.lang.reflect.Field;
import java.lang.reflect.Method;
import java.lang.reflect.Modifier;
import java.nio.file.Files;
import java.nio.file.Path;
import java.util.Arrays;
import java.util.Set;
import java.util.TreeSet;
import java.util.regex.Matcher;
import java.util.regex.Pattern;

/** The public face as the document has it, and those rules of LANGUAGE.md that a look at the class can tell. */
public final class FaceTest {
    private static final String[] FACE = {
        "int row(int,int)", "int lay(int,int,int)", "int tear(int)", "int copy(int,int,int,int,int)", "int mean(int)",
        "int text(int,int)", "int put(int,int,int)", "int fault(int)", "int quarrel(int)", "int told(int)",
        "int sort(int,int,int)", "int notice(int)", "int judge(int,int)", "int way(int,int)",
        "int set(int,int,int,int)", "int setAll(int,int,int)", "int at(int,int,int)", "int kind(int)",
        "int mark(int,int)", "int run(int,int,int,int)", "int worth(int,int,int,int)",
        "int think(int,int,int,int,int,int)", "int end(int,int,int)", "int best(int,int,int)", "int rest(int,int)",
        "int answer(int,int)", "int reply(int,int)", "int longer(int,int)", "int lost(int,int)",
        "int morning(int,int,int,int)", "int law(int,int)", "int men(int,int,int,int)", "int leftBy(int,int,int,int)",
        "int gone(int,int,int)", "int all(int,int)", "int turns(int)", "int fund(int,int)", "int pact(int,int,int)",
        "int asked()", "long upper()", "long lower()", "int count(int)", "int finding()", "int findings(int)",
        "long digest()"
    };
    private static final String[] FORBIDDEN = {
        "\\bthrow\\b", "\\bthrows\\b", "\\btry\\b", "\\bcatch\\b", "\\bsynchronized\\b", "\\bassert\\b", "->", "::",
        "Exact\\b", "\\bpackage\\b", "\\bSystem\\.(?!arraycopy)", "\\bObject\\b", "\\bThread\\b", "\\bRandom\\b",
        "\\bhashCode\\b", "\\btoString\\b", "\\bvolatile\\b", "\\bnative\\b", "\\bprotected\\b"
    };

    public static void main(String[] args) throws IOException {
        face();
        inside();
        if (args.length == 1) {
            source(Files.readString(Path.of(args[0])));
        }
        Check.close();
    }

    private static String signature(Method method) {
        StringBuilder signs = new StringBuilder(method.getReturnType() + " " + method.getName() + "(");
        Class<?>[] types = method.getParameterTypes();
        for (int i = 0; i < types.length; i++) {
            signs.append(i == 0 ? "" : ",").append(types[i]);
        }
        return signs.append(')').toString();
    }

    private static void face() {
        Check.promise("the public face");
        Set<String> due = new TreeSet<>(Arrays.asList(FACE));
        Set<String> names = new TreeSet<>();
        for (Method method : StrikeDays.class.getDeclaredMethods()) {
            if (Modifier.isPrivate(method.getModifiers())) {
                continue;
            }
            names.add(method.getName());
            boolean plain = method.getModifiers() == Modifier.PUBLIC && method.getExceptionTypes().length == 0;
            Check.due(signature(method), due.remove(signature(method)) && plain ? 1 : 0, 1);
        }
        Check.due("calls that are missing " + due, due.size(), 0);
        for (Method method : StrikeDays.class.getDeclaredMethods()) {
            boolean own = Modifier.isPrivate(method.getModifiers());
            Check.due("private " + method.getName(), own && names.contains(method.getName()) ? 1 : 0, 0);
        }
        Check.due("public final", StrikeDays.class.getModifiers(), Modifier.PUBLIC | Modifier.FINAL);
        Constructor<?>[] constructors = StrikeDays.class.getDeclaredConstructors();
        Check.due("constructors", constructors.length, 1);
        Check.due("public constructor", constructors[0].getModifiers(), Modifier.PUBLIC);
        Check.due("its arguments", constructors[0].getParameterCount(), 0);
        for (Field field : StrikeDays.class.getDeclaredFields()) {
            boolean constant = Set.of("BAD", "FULL", "FINDING", "STATE", "NONE").contains(field.getName());
            boolean open = Modifier.isPublic(field.getModifiers());
            Check.due("field " + field.getName(), constant ? (open ? 1 : 0) : (Modifier.isPrivate(field.getModifiers()) ? 1 : 0), 1);
        }
        Check.due("BAD", StrikeDays.BAD, -1);
        Check.due("FULL", StrikeDays.FULL, -2);
        Check.due("FINDING", StrikeDays.FINDING, -3);
        Check.due("STATE", StrikeDays.STATE, -4);
        Check.due("NONE", StrikeDays.NONE, -9);
    }

    private static void inside() {
        Check.promise("LANGUAGE.md 1, 2, 5, 11");
        Class<?>[] classes = StrikeDays.class.getDeclaredClasses();
        Check.due("few classes", classes.length <= 11 ? 1 : 0, 1);
        for (Class<?> one : classes) {
            Check.due(one + " is static", Modifier.isStatic(one.getModifiers()) ? 1 : 0, 1);
            Check.due(one + " is not public", Modifier.isPublic(one.getModifiers()) ? 1 : 0, 0);
            fieldsAndMethods(one);
            for (Method method : one.getDeclaredMethods()) {
                boolean named = Arrays.stream(FACE).anyMatch(f -> f.contains(" " + method.getName() + "("));
                Check.due(one + " names a method as the face does: " + method.getName(), named ? 1 : 0, 0);
            }
        }
        fieldsAndMethods(StrikeDays.class);
    }

    private static void fieldsAndMethods(Class<?> one) {
        int own = 0;
        for (Field field : one.getDeclaredFields()) {
            if (Modifier.isStatic(field.getModifiers())) {
                Check.due("static " + field.getName() + " is final", Modifier.isFinal(field.getModifiers()) ? 1 : 0, 1);
            } else {
                own++;
            }
        }
        Check.due(one + " has few fields", own <= 20 ? 1 : 0, 1);
        for (Method method : one.getDeclaredMethods()) {
            Check.due(method + " takes few arguments", method.getParameterCount() <= 7 ? 1 : 0, 1);
        }
    }

    private static void source(String whole) {
        Check.promise("LANGUAGE.md 4, 6, 11");
        String code = whole.replaceAll("(?s)/\\*.*?\\*/", "").replaceAll("//[^\n]*", "").replaceAll("'.'", "' '");
        for (String word : FORBIDDEN) {
            Matcher found = Pattern.compile(word).matcher(code);
            Check.due("'" + word + "' in the source", found.find() ? 1 : 0, 0);
        }
        Matcher imports = Pattern.compile("import ([^;]*);").matcher(code);
        while (imports.find()) {
            Check.due("import " + imports.group(1), imports.group(1).equals("java.util.Arrays") ? 1 : 0, 1);
        }
        Check.due("signs beyond 127", whole.chars().filter(c -> c > 127).count(), 0);
        shortMethods(whole);
    }

    private static void shortMethods(String whole) {
        int begun = -1;
        String indent = "";
        String[] lines = whole.split("\n");
        for (int i = 0; i < lines.length; i++) {
            if (begun < 0 && lines[i].matches(" +[A-Za-z].*\\) \\{") && !lines[i].matches(" +(if|for|while|switch|else)\\b.*")) {
                begun = i;
                indent = lines[i].substring(0, lines[i].indexOf(lines[i].strip()));
            }
            if (begun >= 0 && lines[i].equals(indent + "}")) {
                Check.due("short: " + lines[begun].strip(), i - begun <= 60 ? 1 : 0, 1);
                begun = -1;
            }
        }
    }
}
