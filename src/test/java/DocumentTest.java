import java.io.IOException;
import java.nio.file.DirectoryStream;
import java.nio.file.Files;
import java.nio.file.Path;
import java.util.ArrayList;
import java.util.Comparator;
import java.util.List;
import java.util.regex.Matcher;
import java.util.regex.Pattern;

/** The parts of the document that the edge tests go through are, one behind the other, the whole of it. */
public final class DocumentTest {
    private static final Path DOCUMENT = Path.of("../shared/DOC.md");
    private static final Path TESTS = Path.of("src/test/java");
    private static final Pattern PART = Pattern.compile("(?:new Edges\\(\"\\w+\", |\\.then\\()\"([^\"]+)\", \"([^\"]*)\"\\)");
    private static final Check CHECK = new Check("DocumentTest");

    private record Part(String test, int begin, int end) { }

    public static void main(String[] args) throws IOException {
        if (!Files.exists(DOCUMENT)) {
            System.out.println("DocumentTest: no " + DOCUMENT);
            return;
        }
        String document = Files.readString(DOCUMENT);
        List<Part> parts = new ArrayList<>();
        try (DirectoryStream<Path> tests = Files.newDirectoryStream(TESTS, "*EdgesTest.java")) {
            for (Path test : tests) parts(document, test, parts);
        }
        parts.sort(Comparator.comparingInt(Part::begin));
        int place = 0;
        for (Part part : parts) {
            CHECK.promise(part.test);
            CHECK.due("its part begins where the one ahead ends", part.begin, place);
            place = part.end;
        }
        CHECK.promise("35");
        CHECK.due("the last part ends with the document", place, document.length());
        CHECK.end();
    }

    private static void parts(String document, Path test, List<Part> parts) throws IOException {
        String name = test.getFileName().toString();
        CHECK.promise(name);
        Matcher m = PART.matcher(Files.readString(test));
        int ahead = parts.size();
        while (m.find()) {
            int begin = document.indexOf(m.group(1));
            int end = m.group(2).isEmpty() ? document.length() : document.indexOf(m.group(2), begin + 1);
            parts.add(new Part(name, begin, end));
        }
        CHECK.due("it has a part", parts.size() > ahead ? 1 : 0, 1);
    }
}
