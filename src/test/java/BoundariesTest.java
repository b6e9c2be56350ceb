import java.io.IOException;

/** Each sentence of the document that names a boundary has checks of its own; the classes *Bounds hold them. */
final class BoundariesTest {
    public static void main(String[] args) throws IOException {
        LotBounds.all();
        PressingBounds.all();
        AppealBounds.all();
        TankBounds.all();
        SettingBounds.all();
        TextBounds.all();
        UndoBounds.all();
        NumberBounds.all();
        RefusalBounds.all();
        Boundaries.dueEachSentence();
        Checks.end();
    }
}
