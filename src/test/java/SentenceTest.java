import java.io.IOException;

/** Every sentence of the document, in its order, with a test of its own. */
public final class SentenceTest {
    public static void main(String[] arguments) throws IOException {
        Sentences sentences = new Sentences(Document.read());
        Section1.test(sentences);
        Section2.test(sentences);
        Section3.test(sentences);
        Section4.test(sentences);
        Section5.test(sentences);
        Section6.test(sentences);
        Section7.test(sentences);
        Section8.test(sentences);
        Promises1To6.test(sentences);
        Promises7To11.test(sentences);
        Promises12To15.test(sentences);
        Promises16To24.test(sentences);
        Promises25To33.test(sentences);
        Promises34To42.test(sentences);
        Promises43To48.test(sentences);
        sentences.sayAll();
        sentences.end();
    }
}
