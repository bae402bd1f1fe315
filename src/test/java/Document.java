import java.io.IOException;
import java.nio.file.Files;
import java.nio.file.Path;
import java.util.ArrayList;
import java.util.List;
import java.util.regex.Matcher;
import java.util.regex.Pattern;

/** The document itself, as the tests look it up. */
final class Document {
    private static final Path FILE = Path.of("..", "shared", "DOC.md");
    private static final String FACE = "(?s)```java\n(.*?)```";
    private static final String HEAD = "(?m)^Ahead of the calls (.*) the interface says: (---- .*)\\.$";
    /** Where nothing stands that a call could answer to. */
    private static final String[] ASIDE = {
        "(?s)\\A.*?(?======== 1 )", "======== \\d", "(?m)^#.*$", "(?m)^```.*$", "`[^`\n]+`", FACE, HEAD,
        "(?s)## Not promised.*"};
    static final String TEXT = read();

    private Document() { }

    private static String read() {
        try {
            return Files.readString(FILE);
        } catch (IOException e) {
            System.out.println(FILE + " can not be read: nothing is looked up in it");
            return "";
        }
    }

    static boolean isThere() {
        return !TEXT.isEmpty();
    }

    /** The story, rulers, headings, fences, the face and its heads, what is not promised. */
    static boolean[] aside() {
        boolean[] aside = new boolean[TEXT.length()];
        for (String pattern : ASIDE) {
            Matcher found = Pattern.compile(pattern).matcher(TEXT);
            while (found.find()) {
                for (int i = found.start(); i < found.end(); i++) {
                    aside[i] = true;
                }
            }
        }
        return aside;
    }

    /** The calls of the face, as a method's name and how many numbers it takes. */
    static List<String> calls() {
        List<String> calls = new ArrayList<>();
        Matcher face = Pattern.compile(FACE).matcher(TEXT);
        Matcher call = Pattern.compile("public int (\\w+)\\((.*?)\\);").matcher(face.find() ? face.group(1) : "");
        while (call.find()) {
            String numbers = call.group(2);
            calls.add(call.group(1) + " " + (numbers.isEmpty() ? 0 : numbers.split(",").length));
        }
        return calls;
    }

    /** The heads of the interface, each ahead of its calls, in the order of the document. */
    static List<String> headsAndCalls() {
        List<String> all = new ArrayList<>();
        Matcher head = Pattern.compile(HEAD).matcher(TEXT);
        while (head.find()) {
            all.add(head.group(2));
            for (String call : head.group(1).split(", ")) {
                all.add(call.replace("`", ""));
            }
        }
        return all;
    }
}
