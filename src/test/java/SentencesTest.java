import java.io.IOException;
import java.nio.file.Path;

/** Each sentence of the document has a test of its own: those of the Terms, and those of the promises. */
public final class SentencesTest {
    public static void main(String[] args) throws IOException {
        Doc.open(Path.of(args[1]));
        TermsOne.all();
        TermsTwo.all();
        TermsThree.all();
        PromisesOfPieces.all();
        PromisesOfDays.all();
        PromisesOfTapes.all();
        Doc.close();
        Due.end();
    }
}
