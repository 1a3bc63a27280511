import java.lang.reflect.Constructor;
import java.lang.reflect.Field;
import java.lang.reflect.Member;
import java.lang.reflect.Method;
import java.lang.reflect.Modifier;
import java.nio.file.Files;
import java.nio.file.Path;
import java.util.ArrayList;
import java.util.Arrays;
import java.util.List;
import java.util.Set;
import java.util.TreeSet;
import java.util.regex.Matcher;
import java.util.regex.Pattern;
import java.util.stream.Collectors;

/** The class has the document's face, and nothing more of it can be seen; the source keeps to what can be searched for. */
public final class FaceTest {
    private FaceTest() {
    }

    public static void main(String[] args) throws Exception {
        face();
        members();
        source();
        Check.finish("FaceTest");
    }

    private static void face() throws Exception {
        String doc = Files.readString(Path.of("../shared/DOC.md"));
        String told = doc.substring(doc.indexOf("public final class"), doc.indexOf("## Terms"));
        Set<String> want = new TreeSet<>();
        Matcher m = Pattern.compile("public (int|long) (\\w+)\\(([^)]*)\\);").matcher(told);
        while (m.find()) {
            String types = Arrays.stream(m.group(3).split(",")).map(p -> p.trim().split(" ")[0])
                    .collect(Collectors.joining(","));
            want.add(m.group(1) + " " + m.group(2) + "(" + types + ")");
        }
        Check.due("methods in the document", want.size(), 74);
        Set<String> got = new TreeSet<>();
        for (Method method : WaistcoatGreen.class.getDeclaredMethods()) {
            if (Modifier.isPublic(method.getModifiers())) {
                String types = Arrays.stream(method.getParameterTypes()).map(Class::getName)
                        .collect(Collectors.joining(","));
                got.add(method.getReturnType() + " " + method.getName() + "(" + types + ")");
                Check.due(method + " is static", Modifier.isStatic(method.getModifiers()) ? 1 : 0, 0);
            }
        }
        Check.due("face " + got + " is " + want, got.equals(want) ? 1 : 0, 1);
        Check.due("NONE", WaistcoatGreen.NONE, -1);
    }

    private static void members() {
        Class<?> c = WaistcoatGreen.class;
        Check.due("public", Modifier.isPublic(c.getModifiers()) ? 1 : 0, 1);
        Check.due("final", Modifier.isFinal(c.getModifiers()) ? 1 : 0, 1);
        Set<String> publicNames = new TreeSet<>();
        List<Member> all = new ArrayList<>();
        all.addAll(Arrays.asList(c.getDeclaredMethods()));
        all.addAll(Arrays.asList(c.getDeclaredFields()));
        for (Member member : all) {
            boolean isPublic = Modifier.isPublic(member.getModifiers());
            Check.due(member + " is public or private", isPublic || Modifier.isPrivate(member.getModifiers()) ? 1 : 0, 1);
            if (isPublic && member instanceof Method) {
                publicNames.add(member.getName());
            }
        }
        for (Constructor<?> made : c.getDeclaredConstructors()) {
            Check.due(made + " is public, of nothing", Modifier.isPublic(made.getModifiers()) ? made.getParameterCount() : 9, 0);
        }
        List<Class<?>> classes = new ArrayList<>(Arrays.asList(c.getDeclaredClasses()));
        Check.due("at most twelve classes", classes.size() < 12 ? 1 : 0, 1);
        classes.add(c);
        for (Class<?> each : classes) {
            Check.due(each + " is static", each == c || Modifier.isStatic(each.getModifiers()) ? 1 : 0, 1);
            fields(each);
            for (Method method : each.getDeclaredMethods()) {
                Check.due(method + " has seven parameters at most", method.getParameterCount() <= 7 ? 1 : 0, 1);
                boolean bears = publicNames.contains(method.getName()) && !(each == c && Modifier.isPublic(method.getModifiers()));
                Check.due(method + " bears the name of a public one", bears ? 1 : 0, 0);
            }
        }
    }

    private static void fields(Class<?> each) {
        int own = 0;
        for (Field field : each.getDeclaredFields()) {
            if (Modifier.isStatic(field.getModifiers())) {
                Check.due(field + " is final", Modifier.isFinal(field.getModifiers()) ? 1 : 0, 1);
            } else {
                own++;
            }
        }
        Check.due(each + " has some twenty fields at most", own <= 20 ? 1 : 0, 1);
    }

    private static void source() throws Exception {
        String text = Files.readString(Path.of("src/main/java/WaistcoatGreen.java"));
        String code = text.replaceAll("(?s)/\\*.*?\\*/", "").replaceAll("//[^\n]*", "")
                .replaceAll("\"[^\"\n]*\"", "\"\"");
        String[] never = {"\\bthrow\\b", "\\bthrows\\b", "\\btry\\b", "\\bcatch\\b", "\\bsynchronized\\b", "\\bassert\\b",
            "\\bimport\\b", "\\bpackage\\b", "->", "::", "Exact\\b", "\\bprotected\\b", "\\bRandom\\b", "\\bObject\\b",
            "\\bSystem\\.(?!arraycopy)", "\\bString\\.", "static \\{", "\\bdouble\\b", "\\bfloat\\b"};
        for (String word : never) {
            Check.due("in the source: " + word, Pattern.compile(word).matcher(code).find() ? 1 : 0, 0);
        }
        int first = 0;
        int line = 0;
        for (String each : code.split("\n", -1)) {
            line++;
            boolean opens = each.matches(" {4}( {4})?(public|private|static|int|long|void|boolean|[A-Z]\\w*)\\b[^=;]*\\{");
            if (opens && each.contains("(")) {
                first = line;
            }
            if (each.matches(" {4}( {4})?\\}") && first > 0) {
                Check.due("the method at " + first + " is short", line - first <= 60 ? 1 : 0, 1);
                first = 0;
            }
        }
    }
}
