import java.io.IOException;
import java.nio.file.Files;
import java.nio.file.Path;
import java.util.Set;
import java.util.regex.Matcher;
import java.util.regex.Pattern;

/** Some rules of ../shared/LANGUAGE.md that can be read off the source. Run at the project's root. */
public final class LanguageTest {
    public static void main(String[] args) throws IOException {
        String source = Files.readString(Path.of("src/main/java/BallAndName.java"));
        String code = source.replaceAll("(?s)/\\*.*?\\*/", " ").replaceAll("//[^\n]*", " ");
        signs(source);
        words(code);
        face(code);
        fields(code);
        methods(source.split("\n"));
        Check.end();
    }

    private static void signs(String source) {
        for (int i = 0; i < source.length(); i++) {
            char sign = source.charAt(i);
            Check.due("sign at " + i, sign == '\n' || sign >= ' ' && sign < 127 ? 0 : 1, 0);
        }
    }

    private static void words(String code) {
        String[] forbidden = {"\\bthrow\\b", "\\bthrows\\b", "\\btry\\b", "\\bcatch\\b", "\\bsynchronized\\b",
            "\\bassert\\b", "->", "::", "\\bpackage\\b", "\\bSystem\\.(?!arraycopy)", "\\bvar\\b", "\\w+Exact\\b",
            "\\bequals\\b", "\\bhashCode\\b", "\\btoString\\b", "\\bstatic \\{", "\\bnative\\b", "\\bprotected\\b"};
        for (String word : forbidden) {
            Matcher found = Pattern.compile(word).matcher(code);
            Check.due("the class has " + word, found.find() ? 1 : 0, 0);
        }
        Matcher imports = Pattern.compile("import ([^;]*);").matcher(code);
        Set<String> allowed = Set.of("java.util.Arrays", "java.util.ArrayList", "java.util.List", "java.util.Iterator");
        while (imports.find()) {
            Check.due("import " + imports.group(1), allowed.contains(imports.group(1)) ? 0 : 1, 0);
        }
        Matcher classes = Pattern.compile("\\bclass \\w+").matcher(code);
        int count = 0;
        while (classes.find()) {
            count++;
        }
        Check.due("more than twelve classes", count > 12 ? 1 : 0, 0);
    }

    /** Public are the class, its constructor, its methods and its constants alone; no other method bears their names. */
    private static void face(String code) {
        Set<String> names = Set.of("write", "wipe", "fault", "lay", "player", "called", "stands", "chance", "thrown",
                "hidden", "safe", "run", "first", "rounds", "call", "letters", "undo", "seen", "forget", "kinds",
                "afternoon", "keep", "back", "count");
        Matcher methods = Pattern.compile("(?m)^ +((?:public |private |static |final )*)(?:int|long|boolean|void|[A-Z]\\w*)"
                + "(?:\\[\\])? (\\w+)\\([^;]*?\\) \\{").matcher(code);
        int found = 0;
        while (methods.find()) {
            boolean isPublic = methods.group(1).contains("public");
            boolean isOfTheFace = names.contains(methods.group(2));
            found += isPublic ? 1 : 0;
            Check.due("method " + methods.group(2) + " is public", isPublic ? 1 : 0, isOfTheFace ? 1 : 0);
        }
        Check.due("public methods", found, names.size());
        Check.due("public in all: class, constants, constructor, methods", code.split("\\bpublic\\b", -1).length - 1,
                names.size() + 3);
    }

    private static void fields(String code) {
        Matcher statics = Pattern.compile("(?m)^ +((?:public |private )?static (?!final)[^({]*)[;=]").matcher(code);
        Check.due("a static field is not final", statics.find() ? 1 : 0, 0);
    }

    /** Rule 11: seven parameters, sixty lines; and rule 12, in the plainest way: constructors alone make objects. */
    private static void methods(String[] lines) {
        Pattern header = Pattern.compile("^( +)(?:(?:public|private|static|final) )*((?:[\\w\\[\\]]+ )?)(\\w+)\\(([^)]*)\\) \\{$");
        int found = 0;
        for (int at = 0; at < lines.length; at++) {
            Matcher method = header.matcher(lines[at]);
            if (!method.matches()) {
                continue;
            }
            found++;
            String name = method.group(3);
            int parameters = method.group(4).isEmpty() ? 0 : method.group(4).split(",").length;
            Check.due(name + ": more than seven parameters", parameters > 7 ? 1 : 0, 0);
            int end = at + 1;
            while (end < lines.length - 1 && !lines[end].equals(method.group(1) + "}")) {
                boolean makes = lines[end].contains("new ") && !lines[end].trim().startsWith("//");
                boolean isConstructor = method.group(2).isEmpty();
                Check.due(name + " makes an object: " + lines[end].trim(), makes && !isConstructor ? 1 : 0, 0);
                end++;
            }
            Check.due(name + ": more than sixty lines", end - at + 1 > 60 ? 1 : 0, 0);
        }
        Check.due("methods and constructors are found", found > 80 ? 1 : 0, 1);
    }
}
