import java.io.IOException;
import java.lang.reflect.Constructor;
import java.lang.reflect.Field;
import java.lang.reflect.Method;
import java.lang.reflect.Modifier;
import java.nio.file.Files;
import java.nio.file.Path;
import java.util.ArrayList;
import java.util.Arrays;
import java.util.HashSet;
import java.util.List;
import java.util.Set;
import java.util.TreeSet;
import java.util.regex.Matcher;
import java.util.regex.Pattern;

/** The face of the document, and those rules of LANGUAGE.md that can be seen from outside. */
public final class FaceTest {
    private static final Check check = new Check();
    private static final String[] FACE = {
        "int post(int,int,int,int)", "int way(int,int)", "int slow(int,int)", "int sheet(int,int,int)",
        "int dated(int,int)", "int behind(int,int)", "int happened(int,int,int)", "int span(int,int)",
        "int ahead(int,int)", "int say(int,int,int,int,boolean,boolean)", "int change(int,int)", "int own(int)",
        "int from(int)", "int voice(int,int)", "int voices(int,boolean)", "int grew(int)", "int habit(int)",
        "int write(int,long)", "int wipe()", "int fault()", "int force()", "int rule(int,int,int)",
        "int why(int,int,int)", "int quarrel()", "int closet(int)", "int came(int)", "int belief(int,int,int)",
        "int banned(int)", "int truth(int,int)", "int right(int,int)", "long beyond(int,int,int)",
        "int known(int,int,int)", "int worth(int,int,int)", "int buy(int,int,int)", "int keep()", "int back()",
        "int count(int)"};

    public static void main(String[] args) throws IOException {
        String source = Files.readString(Path.of(args.length > 0 ? args[0] : "src/main/java/HandNews.java"));
        constants();
        methods();
        membersAreHidden();
        classesInside();
        words(source);
        check.end();
    }

    private static void constants() {
        check.due("BAD", -1, HandNews.BAD);
        check.due("NO", -2, HandNews.NO);
        check.due("FULL", -3, HandNews.FULL);
        check.due("NONE", -4, HandNews.NONE);
        check.holds("the class is public and final",
                Modifier.isPublic(HandNews.class.getModifiers()) && Modifier.isFinal(HandNews.class.getModifiers()));
    }

    private static String signature(Method method) {
        List<String> types = new ArrayList<>();
        for (Class<?> type : method.getParameterTypes()) {
            types.add(type.getSimpleName());
        }
        return method.getReturnType().getSimpleName() + " " + method.getName() + "(" + String.join(",", types) + ")";
    }

    private static void methods() {
        Set<String> due = new TreeSet<>(Arrays.asList(FACE));
        Set<String> there = new TreeSet<>();
        for (Method method : HandNews.class.getDeclaredMethods()) {
            if (Modifier.isPublic(method.getModifiers())) {
                there.add(signature(method));
                check.holds(method.getName() + " is no static method", !Modifier.isStatic(method.getModifiers()));
            }
        }
        check.holds("the methods are those of the document: " + there, due.equals(there));
        Constructor<?>[] constructors = HandNews.class.getDeclaredConstructors();
        check.due("constructors", 1, constructors.length);
        check.holds("it is public and takes nothing",
                Modifier.isPublic(constructors[0].getModifiers()) && constructors[0].getParameterCount() == 0);
    }

    private static void membersAreHidden() {
        Set<String> face = new HashSet<>();
        for (String signature : FACE) {
            face.add(signature.substring(signature.indexOf(' ') + 1, signature.indexOf('(')));
        }
        Set<String> constants = Set.of("BAD", "NO", "FULL", "NONE");
        int fields = 0;
        for (Field field : HandNews.class.getDeclaredFields()) {
            check.holds(field.getName() + " is private or of the face",
                    constants.contains(field.getName()) || Modifier.isPrivate(field.getModifiers()));
            check.holds("static ones are final",
                    !Modifier.isStatic(field.getModifiers()) || Modifier.isFinal(field.getModifiers()));
            fields += Modifier.isStatic(field.getModifiers()) ? 0 : 1;
        }
        check.holds("some twenty fields at most", fields <= 20);
        for (Method method : HandNews.class.getDeclaredMethods()) {
            if (Modifier.isPublic(method.getModifiers())) {
                continue;
            }
            check.holds(method.getName() + " is private", Modifier.isPrivate(method.getModifiers()));
            check.holds(method.getName() + " bears no public name", !face.contains(method.getName()));
        }
        for (Class<?> inside : HandNews.class.getDeclaredClasses()) {
            for (Method method : inside.getDeclaredMethods()) {
                check.holds(method.getName() + " bears no public name", !face.contains(method.getName()));
                check.holds("seven parameters at most", method.getParameterCount() <= 7);
            }
        }
    }

    private static void classesInside() {
        Class<?>[] inside = HandNews.class.getDeclaredClasses();
        check.holds("some twelve classes at most", inside.length <= 11);
        for (Class<?> one : inside) {
            check.holds(one.getName() + " is private and static",
                    Modifier.isPrivate(one.getModifiers()) && Modifier.isStatic(one.getModifiers()));
            int fields = 0;
            for (Field field : one.getDeclaredFields()) {
                fields += Modifier.isStatic(field.getModifiers()) ? 0 : 1;
            }
            check.holds(one.getName() + " has some twenty fields at most", fields <= 20);
        }
    }

    private static void words(String source) {
        String code = source.replaceAll("(?s)/\\*.*?\\*/", "").replaceAll("//[^\n]*", "");
        String[] refused = {
            "throw", "throws", "try", "catch", "synchronized", "assert", "package", "native", "volatile", "transient",
            "protected", "Object", "System\\.(?!arraycopy)\\w+", "hashCode", "toString", "Thread", "Random", "\\w+Exact"};
        for (String word : refused) {
            check.holds("the code has no '" + word + "'", !Pattern.compile("\\b" + word + "\\b").matcher(code).find());
        }
        check.holds("no lambda", !code.contains("->"));
        check.holds("no method reference", !code.contains("::"));
        Matcher imports = Pattern.compile("import ([\\w.]+);").matcher(code);
        while (imports.find()) {
            check.holds("import " + imports.group(1), imports.group(1).equals("java.util.Arrays"));
        }
        check.holds("signs of one byte", source.chars().allMatch(sign -> sign < 128));
    }
}
