import java.util.NoSuchElementException;

/** The exceptions that the document names; a test that implements this names them in a word. */
interface Kinds {
    Class<IllegalStateException> STATE = IllegalStateException.class;
    Class<IllegalArgumentException> ARGUMENT = IllegalArgumentException.class;
    Class<IndexOutOfBoundsException> INDEX = IndexOutOfBoundsException.class;
    Class<NoSuchElementException> NO_SUCH = NoSuchElementException.class;
}
